import java.io.PrintWriter;
import java.io.StringWriter;
import java.lang.reflect.Array;
import java.lang.reflect.Constructor;
import java.lang.reflect.Field;
import java.lang.reflect.Method;
import java.lang.reflect.Modifier;
import java.nio.charset.StandardCharsets;
import java.nio.file.Files;
import java.nio.file.Path;
import java.util.ArrayList;
import java.util.Arrays;
import java.util.List;
import java.util.Map;
import java.util.Set;
import java.util.TreeMap;
import java.util.TreeSet;
import java.util.regex.Matcher;
import java.util.regex.Pattern;
import java.util.spi.ToolProvider;

/** What can be seen of LANGUAGE.md's rules, and the face and the room of the class. */
public final class LanguageTest {
    private static final String[] FACE = {
        "write long int", "erase", "fault", "treaty", "work int int", "meant int int int int",
        "done int int int int", "ill int int boolean", "days int", "person int int int", "bread int",
        "breaches int", "as int int", "plan int int int", "planned int int int int int",
        "news int int int boolean", "harm int int int", "anew int", "forced int int",
        "like int int int int", "fours int", "record boolean", "burn", "slips int int int", "keep int",
        "back int", "count int"};
    private static final String[] CONSTANTS = {"FULL", "NONE", "NOT", "OUTSIDE", "UNKNOWN"};
    private static final int MOST_CALLS = 512, MOST_OBJECTS = 600_000, MOST_ELEMENTS = 7_300_000;

    private static int objects = 0, elements = 0;

    public static void main(String[] args) throws Exception {
        constants();
        face();
        nestedClasses();
        String source = Files.readString(Path.of("src/main/java/EvenDays.java"), StandardCharsets.ISO_8859_1);
        words(source);
        methods(source);
        newThings(source);
        depth();
        room();
        Due.end("LanguageTest");
    }

    private static void constants() {
        Due.is("NONE", EvenDays.NONE, -1);
        Due.is("UNKNOWN", EvenDays.UNKNOWN, -2);
        Due.is("OUTSIDE", EvenDays.OUTSIDE, -3);
        Due.is("NOT", EvenDays.NOT, -4);
        Due.is("FULL", EvenDays.FULL, -5);
    }

    private static void face() {
        Set<String> methods = new TreeSet<>(), fields = new TreeSet<>();
        for (Method method : EvenDays.class.getDeclaredMethods()) {
            if (Modifier.isPrivate(method.getModifiers())) continue;
            StringBuilder text = new StringBuilder(method.getName());
            for (Class<?> type : method.getParameterTypes()) text.append(' ').append(type);
            methods.add(text.toString());
            Due.isTrue(method + " is public and answers an int",
                    method.getModifiers() == Modifier.PUBLIC && method.getReturnType() == int.class);
        }
        for (Field field : EvenDays.class.getDeclaredFields()) {
            if (!Modifier.isPrivate(field.getModifiers())) fields.add(field.getName());
        }
        Due.isTrue("methods " + methods, methods.equals(new TreeSet<>(Arrays.asList(FACE))));
        Due.isTrue("constants " + fields, fields.equals(new TreeSet<>(Arrays.asList(CONSTANTS))));
        Constructor<?>[] constructors = EvenDays.class.getDeclaredConstructors();
        Due.isTrue("one public constructor without anything", constructors.length == 1
                && constructors[0].getModifiers() == Modifier.PUBLIC && constructors[0].getParameterCount() == 0);
        Due.isTrue("public and final", EvenDays.class.getModifiers() == (Modifier.PUBLIC | Modifier.FINAL));
    }

    private static void nestedClasses() {
        Set<String> names = new TreeSet<>();
        for (String call : FACE) names.add(call.split(" ")[0]);
        List<Class<?>> all = new ArrayList<>(Arrays.asList(EvenDays.class.getDeclaredClasses()));
        Due.isTrue("at most twelve classes", all.size() + 1 <= 12);
        for (Class<?> c : all) {
            Due.isTrue(c + " is static", Modifier.isStatic(c.getModifiers()) && !Modifier.isPublic(c.getModifiers()));
            for (Method method : c.getDeclaredMethods()) {
                Due.isTrue(method + " has a name of its own", !names.contains(method.getName()));
            }
        }
        for (Method method : EvenDays.class.getDeclaredMethods()) {
            boolean isPrivate = Modifier.isPrivate(method.getModifiers());
            Due.isTrue(method + " has a name of its own", !isPrivate || !names.contains(method.getName()));
        }
        all.add(EvenDays.class);
        for (Class<?> c : all) {
            int fields = 0;
            for (Field field : c.getDeclaredFields()) {
                boolean isStatic = Modifier.isStatic(field.getModifiers());
                if (!isStatic) fields++;
                Due.isTrue(field + " is final, if static", !isStatic || Modifier.isFinal(field.getModifiers()));
            }
            Due.isTrue(c + " has at most twenty fields", fields <= 20);
        }
    }

    private static void words(String source) {
        for (int i = 0; i < source.length(); i++) {
            if (source.charAt(i) > 127) Due.isTrue("sign " + i + " is below 128", false);
        }
        String code = withoutComments(source);
        String[] never = {"throw", "throws", "try", "catch", "finally", "synchronized", "assert", "volatile", "transient",
            "native", "instanceof", "package", "protected", "var", "yield", "double", "float", "NullPointerException", "Exception", "Throwable"};
        for (String word : never) {
            Due.isTrue("no " + word, !Pattern.compile("\\b" + word + "\\b").matcher(code).find());
        }
        for (String sign : new String[] {"->", "::", "@", "...", "Exact(", "equals(", "hashCode(", "toString("}) {
            Due.isTrue("no " + sign, !code.contains(sign));
        }
        Due.isTrue("no static block", !Pattern.compile("static\\s*\\{").matcher(code).find());
        Matcher imports = Pattern.compile("import\\s+([\\w.*]+);").matcher(code);
        while (imports.find()) Due.isTrue("import " + imports.group(1), imports.group(1).equals("java.util.Arrays"));
        Matcher library = Pattern.compile("\\b(Arrays|Math|Integer|Long|System|String)\\.(\\w+)").matcher(code);
        Set<String> known = Set.of("Arrays.fill", "Math.min", "Math.max", "Integer.bitCount");
        while (library.find()) Due.isTrue(library.group(), known.contains(library.group()));
    }

    private static String withoutComments(String source) {
        return source.replaceAll("(?s)/\\*.*?\\*/", "").replaceAll("//[^\n]*", "");
    }

    private static void methods(String source) {
        String[] lines = source.split("\n");
        Pattern head = Pattern.compile("^( {4}| {8})(?:public |private |static |final )*[\\w\\[\\]]+ ?\\w*\\((.*)\\) \\{$");
        int seen = 0;
        for (int i = 0; i < lines.length; i++) {
            Matcher m = head.matcher(lines[i]);
            if (!m.matches()) continue;
            int end = i;
            while (end < lines.length && !lines[end].equals(m.group(1) + "}")) end++;
            Due.isTrue(lines[i].trim() + " is short", end - i <= 60);
            Due.isTrue(lines[i].trim() + " takes at most seven", m.group(2).split(",").length <= 7);
            seen++;
        }
        Due.isTrue("methods were seen", seen > 80);
    }

    /** Things are made with the object and by no call, so a run's room is that of its objects. */
    private static void newThings(String source) {
        String code = withoutComments(source);
        for (String line : code.split("\n")) {
            if (!Pattern.compile("\\bnew\\b|\\bclone\\b|copyOf").matcher(line).find()) continue;
            boolean isField = line.trim().startsWith("private final ") || line.contains("tokens = new Tokens(");
            Due.isTrue("made with the object: " + line.trim(), isField);
        }
    }

    /** Calls go at most eight deep, and none calls itself: javap tells who calls whom. */
    private static void depth() {
        List<String> classes = new ArrayList<>(Arrays.asList("-p", "-c", "-cp", System.getProperty("java.class.path"), "EvenDays"));
        for (Class<?> c : EvenDays.class.getDeclaredClasses()) classes.add(c.getName());
        StringWriter told = new StringWriter();
        ToolProvider javap = ToolProvider.findFirst("javap").orElseThrow();
        Due.is("javap", javap.run(new PrintWriter(told), new PrintWriter(System.out), classes.toArray(new String[0])), 0);
        Map<String, Set<String>> calls = new TreeMap<>();
        Pattern head = Pattern.compile("^  (?:[\\w.$\\[\\]]+ )*([\\w.$]+)\\(.*\\);$");
        Pattern call = Pattern.compile("// Method (?:([\\w/$]+)\\.)?\"?([\\w<>]+)\"?:");
        String inClass = "", method = "";
        for (String line : told.toString().split("\\R")) {
            Matcher start = Pattern.compile("class ([\\w$]+).*\\{").matcher(line);
            Matcher begins = head.matcher(line), goes = call.matcher(line);
            if (start.find()) inClass = start.group(1);
            if (begins.matches()) {
                method = inClass + "." + (begins.group(1).equals(inClass) ? "<init>" : begins.group(1));
                calls.put(method, new TreeSet<>());
            } else if (goes.find() && !method.isEmpty()) {
                String target = goes.group(1) == null ? inClass : goes.group(1);
                calls.get(method).add(target + "." + goes.group(2));
            }
        }
        Due.isTrue("methods were told", calls.size() > 90);
        for (String each : calls.keySet()) {
            int deep = deepest(each, calls, 0);
            Due.isTrue(each + " goes " + deep + " deep", deep <= 8);
        }
    }

    private static int deepest(String method, Map<String, Set<String>> calls, int above) {
        int deep = 0;
        for (String each : above > 20 ? Set.<String>of() : calls.getOrDefault(method, Set.of())) {
            deep = Math.max(deep, deepest(each, calls, above + 1));
        }
        return deep + 1;
    }

    private static void room() throws Exception {
        measure(new EvenDays());
        System.out.println("a new object: " + objects + " objects and arrays, " + elements + " fields and elements");
        Due.isTrue("objects", objects * MOST_CALLS <= MOST_OBJECTS);
        Due.isTrue("elements", elements * MOST_CALLS <= MOST_ELEMENTS);
    }

    private static void measure(Object thing) throws Exception {
        objects++;
        if (thing.getClass().isArray()) {
            elements += Array.getLength(thing);
            boolean holdsObjects = !thing.getClass().getComponentType().isPrimitive();
            for (int i = 0; holdsObjects && i < Array.getLength(thing); i++) measure(Array.get(thing, i));
            return;
        }
        for (Field field : thing.getClass().getDeclaredFields()) {
            if (Modifier.isStatic(field.getModifiers())) continue;
            elements++;
            field.setAccessible(true);
            if (!field.getType().isPrimitive()) measure(field.get(thing));
        }
    }
}
