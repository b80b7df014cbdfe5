import java.io.IOException;
import java.lang.reflect.Method;
import java.lang.reflect.Modifier;
import java.nio.file.Files;
import java.nio.file.Path;
import java.util.HashSet;
import java.util.Set;
import java.util.regex.Matcher;
import java.util.regex.Pattern;

/** What of ../shared/LANGUAGE.md can be seen from the words of the source and from the compiled classes. */
public final class LanguageTest {
    private static final Path SOURCE = Path.of("src/main/java/CityRoad.java");
    private static final String[] FORBIDDEN = {
        "throw", "throws", "try", "catch", "finally", "synchronized", "assert", "->", "::", "equals", "hashCode", "toString",
        "Random", "Thread", "native", "transient", "volatile", "protected", "package", "var", "record", "yield", "Object",
        "Float", "Double", "Exact", "stream", "currentTimeMillis", "nanoTime", "getClass", "println",
    };
    private static int wrong = 0;

    public static void main(String[] args) throws IOException {
        String source = Files.readString(SOURCE);
        String code = source.replaceAll("(?s)/\\*.*?\\*/", " ").replaceAll("//[^\n]*", " ");
        words(source, code);
        methods(code);
        classes();
        System.out.println("LanguageTest: " + wrong + " faults");
        if (wrong != 0) System.exit(1);
    }

    private static void fault(String what) {
        wrong++;
        System.out.println("LanguageTest: " + what);
    }

    private static void words(String source, String code) {
        for (String word : FORBIDDEN) {
            String edge = Character.isLetter(word.charAt(0)) ? "\\b" : "";
            if (Pattern.compile(edge + word + edge).matcher(code).find()) fault("there is a " + word);
        }
        for (int i = 0; i < source.length(); i++) {
            if (source.charAt(i) > 127) fault("a sign beyond 127 at " + i);
        }
        Matcher imports = Pattern.compile("import ([^;]*);").matcher(code);
        while (imports.find()) {
            if (!imports.group(1).equals("java.util.Arrays")) fault("import of " + imports.group(1));
        }
        // every array is made in a field or a constructor: no call makes an object
        Matcher news = Pattern.compile("(?m)^( *)(.*\\bnew\\b.*)$").matcher(code);
        while (news.find()) {
            boolean field = news.group(2).startsWith("private final") || news.group(2).startsWith("final");
            boolean made = news.group(2).matches("\\w+ = new \\w+(\\(.*\\)|\\[\\d+\\]);") && news.group(1).length() == 8;
            if (!field && !made) fault("made in a call: " + news.group(2));
        }
    }

    private static void methods(String code) {
        Matcher heads = Pattern.compile("(?m)^( {4}| {8})((?:public |private |static |final )*)(?:[\\w\\[\\]]+ )?(\\w+)\\(([^)]*)\\) \\{$").matcher(code);
        int number = 0;
        while (heads.find()) {
            number++;
            int end = code.indexOf("\n" + heads.group(1) + "}", heads.end());
            long lines = code.substring(heads.start(), end).lines().count();
            if (lines > 60) fault(heads.group(3) + " takes " + lines + " lines");
            if (heads.group(4).split(",").length > 7) fault(heads.group(3) + " takes more than seven parameters");
        }
        if (number < 150) fault("only " + number + " methods found: the pattern is too narrow");
    }

    private static void classes() {
        Set<String> face = new HashSet<>();
        for (Method m : CityRoad.class.getDeclaredMethods()) {
            if (Modifier.isPublic(m.getModifiers())) face.add(m.getName());
            else if (!Modifier.isPrivate(m.getModifiers())) fault(m.getName() + " can be seen from outside");
        }
        if (face.size() != 54) fault("the face has " + face.size() + " methods");
        for (Method m : CityRoad.class.getDeclaredMethods()) {
            if (!Modifier.isPublic(m.getModifiers()) && face.contains(m.getName())) fault(m.getName() + " bears a public name");
        }
        if (CityRoad.class.getDeclaredClasses().length > 11) fault("more than twelve classes");
        fields(CityRoad.class, true);
        for (Class<?> inner : CityRoad.class.getDeclaredClasses()) {
            if (!Modifier.isStatic(inner.getModifiers())) fault(inner.getName() + " is not static");
            for (Method m : inner.getDeclaredMethods()) {
                if (face.contains(m.getName())) fault(inner.getName() + "." + m.getName() + " bears a public name");
            }
            fields(inner, false);
        }
    }

    private static void fields(Class<?> owner, boolean outer) {
        int own = 0;
        for (java.lang.reflect.Field f : owner.getDeclaredFields()) {
            int how = f.getModifiers();
            if (Modifier.isStatic(how) && !Modifier.isFinal(how)) fault(f + " is static and changes");
            if (outer && !Modifier.isPrivate(how) && !(Modifier.isPublic(how) && Modifier.isStatic(how))) fault(f + " can be seen");
            if (!Modifier.isStatic(how)) own++;
        }
        if (own > 20) fault(owner.getName() + " has " + own + " fields");
    }
}
