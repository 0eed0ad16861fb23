import java.lang.reflect.Member;
import java.lang.reflect.Modifier;
import java.nio.file.Files;
import java.nio.file.Path;
import java.util.HashSet;
import java.util.Set;
import java.util.TreeSet;

/** The face of the class is the document's and no more, and its source keeps off what LANGUAGE.md leaves out. */
public final class LanguageTest {
    private static final String FACE = "feed end fault text rule damp thing lies law moles months lay takes sell buy lose search"
        + " give years status undo log grown ripeIn best laying way full seen damps ask game rests safe odds shares most"
        + " image back count";

    public static void main(String[] args) throws Exception {
        Set<String> face = new HashSet<>(Set.of(FACE.split(" ")));
        Check.due("forty methods", face.size(), 40);
        members(face);
        for (Class<?> inside : BuriedGoods.class.getDeclaredClasses()) {
            Check.due(inside + " is static", Modifier.isStatic(inside.getModifiers()), true);
            for (Member method : inside.getDeclaredMethods()) {
                boolean named = Modifier.isPrivate(method.getModifiers()) && face.contains(method.getName());
                Check.due(inside + " uses the name " + method.getName(), named, false);
            }
        }
        Check.due("classes", BuriedGoods.class.getDeclaredClasses().length <= 14, true);
        source();
        Check.finish("LanguageTest");
    }

    private static void members(Set<String> face) {
        Set<String> open = new TreeSet<>();
        for (Member method : BuriedGoods.class.getDeclaredMethods()) {
            boolean hidden = Modifier.isPrivate(method.getModifiers());
            Check.due(method + " is public or private", hidden || Modifier.isPublic(method.getModifiers()), true);
            Check.due(method + " is of the face or private", face.contains(method.getName()), !hidden);
            if (!hidden) {
                open.add(method.getName());
            }
        }
        Check.due("the whole face", open.equals(new TreeSet<>(face)), true);
        int fields = 0;
        for (Member field : BuriedGoods.class.getDeclaredFields()) {
            boolean constant = field.getName().equals("NONE") || field.getName().equals("HIDDEN");
            Check.due(field + " is open", Modifier.isPublic(field.getModifiers()), constant);
            Check.due(field + " is hidden", Modifier.isPrivate(field.getModifiers()), !constant);
            fields += Modifier.isStatic(field.getModifiers()) ? 0 : 1;
        }
        Check.due("fields", fields <= 24, true);
        Check.due("NONE", BuriedGoods.NONE, -1);
        Check.due("HIDDEN", BuriedGoods.HIDDEN, -1000000);
    }

    private static void source() throws Exception {
        String all = Files.readString(Path.of("src/main/java/BuriedGoods.java"));
        String code = all.replaceAll("(?s)/\\*.*?\\*/", "").replaceAll("//[^\n]*", "").replaceAll("(case [^;{}]*|default *)->", "");
        String[] never = {"->", "::", "\\bfinally\\b", "\\bsynchronized\\b", "\\bassert\\b", "\\bSystem\\.(?!arraycopy)", "\\bThread\\b",
            "\\bpackage\\b", "static \\{", "Exact\\b", "\\bprotected\\b", "catch \\((ArrayIndex|NullPointer|ClassCast|NegativeArray|ArrayStore)"};
        for (String word : never) {
            Check.due("the source has " + word, java.util.regex.Pattern.compile(word).matcher(code).find(), false);
        }
        for (String line : code.split("\n")) {
            Check.due("the import: " + line, line.startsWith("import ") && !line.startsWith("import java.util."), false);
        }
        for (char sign : all.toCharArray()) {
            if (sign > 126) {
                Check.due("the sign " + (int) sign, 0, 1);
            }
        }
    }
}
