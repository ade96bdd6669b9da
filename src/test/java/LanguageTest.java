import java.io.IOException;
import java.lang.reflect.Constructor;
import java.lang.reflect.Field;
import java.lang.reflect.Method;
import java.lang.reflect.Modifier;
import java.nio.file.Files;
import java.nio.file.Path;
import java.util.ArrayList;
import java.util.List;
import java.util.Set;
import java.util.TreeSet;
import java.util.regex.Matcher;
import java.util.regex.Pattern;

/** What of the rules for the source can be seen by looking at it, and at the class. */
public final class LanguageTest {
    private static final String FACE = "boolean pond(int,int);int sight(int,int,int,int,int,int);int feed(int,int,int,int,int);"
            + "int end(int);int text();int fault(int);boolean by(int);int saw(int,boolean);int straw(int,int);int day(int);"
            + "int sell(int);int played(int);int summer(int,int);int undo();int block(int,int);int blockOf(int,int);"
            + "int ofSight(int,int);int is(int);int whole();int sawing(int,int,int);int foretold(int,int);int showsIn(int);"
            + "int dearest(int);int together(int);int ice(boolean);int gone();int litter();long lasts(int,int,boolean);"
            + "int sellFirst(int);int order(int,int,int);int served(int);int glass(int,int,int,boolean);int layers(int,int);"
            + "int bid(int);int auction(int);int lies(int);int kiss(int,int,boolean);int unseen(int,boolean);int measure(int,int);"
            + "int speed(int);int sellers(int);int strawBest(int,int);int melt(int,int,int,int);int whoseLaw();int image();"
            + "int back();int about(int)";

    public static void main(String[] args) throws IOException {
        Check.promise("LANGUAGE.md");
        face();
        classes();
        String source = Files.readString(Path.of("src/main/java/CutInMay.java"));
        words(source);
        methods(source);
        Check.finish();
    }

    private static String signature(Method method) {
        List<String> types = new ArrayList<>();
        for (Class<?> type : method.getParameterTypes()) types.add(type.getName());
        return method.getReturnType().getName() + " " + method.getName() + "(" + String.join(",", types) + ")";
    }

    private static void face() {
        Class<?> face = CutInMay.class;
        Check.due("1: public and final", Modifier.isPublic(face.getModifiers()) && Modifier.isFinal(face.getModifiers()), true);
        Set<String> open = new TreeSet<>();
        for (Method method : face.getDeclaredMethods()) {
            if (Modifier.isPublic(method.getModifiers())) open.add(signature(method));
            else Check.due("1: private " + method.getName(), Modifier.isPrivate(method.getModifiers()), true);
        }
        Set<String> due = new TreeSet<>(List.of(FACE.split(";")));
        Check.due("1: the face is " + open, open.equals(due), true);
        for (Field field : face.getDeclaredFields()) {
            boolean constant = field.getName().equals("NONE");
            Check.due("1: field " + field.getName(), constant || Modifier.isPrivate(field.getModifiers()), true);
        }
        Constructor<?>[] constructors = face.getDeclaredConstructors();
        Check.due("1: constructors", constructors.length, 1);
        Check.due("1: its parameters", constructors[0].getParameterCount(), 0);
    }

    private static void classes() {
        Set<String> open = new TreeSet<>();
        for (Method method : CutInMay.class.getMethods()) {
            if (method.getDeclaringClass() == CutInMay.class) open.add(method.getName());
        }
        Check.due("11: twelve classes", CutInMay.class.getDeclaredClasses().length < 12, true);
        for (Class<?> inner : CutInMay.class.getDeclaredClasses()) {
            String name = inner.getSimpleName();
            Check.due("2: static " + name, Modifier.isStatic(inner.getModifiers()), true);
            Check.due("1: hidden " + name, Modifier.isPublic(inner.getModifiers()), false);
            int fields = 0;
            for (Field field : inner.getDeclaredFields()) {
                boolean fixed = Modifier.isStatic(field.getModifiers());
                Check.due("5: final " + name + "." + field.getName(), !fixed || Modifier.isFinal(field.getModifiers()), true);
                fields += fixed ? 0 : 1;
            }
            Check.due("11: fields of " + name, fields <= 20, true);
            for (Method method : inner.getDeclaredMethods()) {
                Check.due("1: a name of the face, " + name + "." + method.getName(), open.contains(method.getName()), false);
                Check.due("11: parameters of " + name + "." + method.getName(), method.getParameterCount() <= 7, true);
            }
        }
    }

    private static String bare(String source) {
        return source.replaceAll("(?s)/\\*.*?\\*/", "").replaceAll("//[^\n]*", "").replaceAll("'(\\\\.|[^'])'", "0");
    }

    private static void words(String source) {
        String code = bare(source);
        String[] banned = {
            "throw", "throws", "try", "catch", "finally", "synchronized", "assert", "double", "float", "native", "package", "var", "yield"
        };
        for (String word : banned) Check.due("6: " + word, Pattern.compile("\\b" + word + "\\b").matcher(code).find(), false);
        Check.due("2: no lambda", code.contains("->"), false);
        Check.due("2: no method reference", code.contains("::"), false);
        Check.due("4: no name that ends in Exact", Pattern.compile("Exact\\b").matcher(code).find(), false);
        Matcher imports = Pattern.compile("import ([^;]+);").matcher(code);
        while (imports.find()) Check.due("4: import " + imports.group(1), imports.group(1).equals("java.util.Arrays"), true);
        Matcher library = Pattern.compile("\\b(Arrays|Math|Integer|Long|System)\\.(\\w+)").matcher(code);
        Set<String> listed = Set.of("Arrays.copyOf", "Arrays.fill", "Math.max", "Math.min", "Math.abs", "Integer.bitCount", "System.arraycopy");
        while (library.find()) Check.due("4: " + library.group(), listed.contains(library.group()), true);
        for (int i = 0; i < source.length(); i++) {
            if (source.charAt(i) > 126) Check.due("4: sign at " + i, source.charAt(i), '?');
        }
    }

    private static void methods(String source) {
        String[] lines = source.split("\n");
        int from = -1;
        String indent = "";
        for (int i = 0; i < lines.length; i++) {
            Matcher head = Pattern.compile("^(    |        )(public|private|static|final|int|long|boolean|void|Text|[A-Z]\\w*)\\b.*\\) \\{$").matcher(lines[i]);
            if (from < 0 && head.find()) {
                from = i;
                indent = head.group(1);
            } else if (from >= 0 && lines[i].equals(indent + "}")) {
                Check.due("11: the method at line " + (from + 1) + " is short", i - from < 60, true);
                from = -1;
            }
            Check.due("line " + (i + 1) + " isn't too long", lines[i].length() <= 120, true);
        }
    }
}
