import java.io.IOException;
import java.lang.reflect.Constructor;
import java.lang.reflect.Field;
import java.lang.reflect.Member;
import java.lang.reflect.Method;
import java.lang.reflect.Modifier;
import java.nio.file.Files;
import java.nio.file.Path;
import java.util.ArrayList;
import java.util.LinkedHashMap;
import java.util.List;
import java.util.Map;
import java.util.TreeSet;
import java.util.regex.Matcher;
import java.util.regex.Pattern;

/** The class has the members of the document's face and no other that can be seen; its source tells them alike. */
public final class FaceTest {
    private static final Check check = new Check();
    private static final Path SOURCE = Path.of("src/main/java/CoinRails.java");
    /** A public member of the outer class, up to where its body begins, or a heading ahead of some. */
    private static final Pattern MEMBER = Pattern.compile("(?m)^    (public [^{;]*)[{;]|^    // ---- (.*)$");
    private static final Pattern NAME = Pattern.compile("(\\w+)\\(");
    private static final String INDEX = " throws java.lang.IndexOutOfBoundsException";
    private static final String ARGUMENT = "java.lang.IllegalArgumentException";
    private static final String STATE = "java.lang.IllegalStateException";

    private static final String[] FACE = {
        "public static final int CoinRails.NONE",
        "public CoinRails()",
        "public int CoinRails.addKind(int,int,int) throws " + ARGUMENT + "," + STATE,
        "public int CoinRails.setHome(int,int)" + INDEX + "," + ARGUMENT,
        "public int CoinRails.setGap(int,int)" + INDEX + "," + ARGUMENT + "," + STATE,
        "public int CoinRails.feed(int,int)" + INDEX + "," + ARGUMENT,
        "public int CoinRails.feedSome(int,int) throws " + ARGUMENT + "," + STATE,
        "public int CoinRails.free(int)" + INDEX + "," + STATE,
        "public int CoinRails.takeBag(int)" + INDEX,
        "public int CoinRails.takeRejects()",
        "public int CoinRails.kind(int,int)" + INDEX + "," + ARGUMENT,
        "public int CoinRails.rail(int,int)" + INDEX + "," + ARGUMENT,
        "public int CoinRails.count(int,int)" + INDEX,
        "public int CoinRails.value(int) throws " + ARGUMENT,
        "public int CoinRails.where(int,int)" + INDEX + "," + ARGUMENT,
        "public int CoinRails.mostWear(int)" + INDEX,
        "public int CoinRails.bestGap(int)" + INDEX,
        "public int CoinRails.supply(int)" + INDEX,
        "public int CoinRails.worstKind()",
        "public double CoinRails.right()",
        "public int CoinRails.append(int) throws " + ARGUMENT + "," + STATE,
        "public int CoinRails.clearText()",
        "public int CoinRails.parse()",
        "public int CoinRails.undo() throws " + STATE,
        "public long CoinRails.digest()",
    };

    public static void main(String[] args) throws IOException {
        check.same("the class's modifiers", CoinRails.class.getModifiers(), Modifier.PUBLIC | Modifier.FINAL);
        TreeSet<String> due = new TreeSet<>(List.of(FACE));
        TreeSet<String> found = new TreeSet<>();
        for (Field field : CoinRails.class.getDeclaredFields()) {
            if (isSeen(field)) {
                found.add(field.toGenericString());
            }
        }
        for (Constructor<?> constructor : CoinRails.class.getDeclaredConstructors()) {
            if (isSeen(constructor)) {
                found.add(constructor.toGenericString());
            }
        }
        for (Method method : CoinRails.class.getDeclaredMethods()) {
            if (isSeen(method)) {
                found.add(method.toGenericString());
            }
        }
        check.same("the face", String.join("\n  ", found), String.join("\n  ", due));
        namesAreApart();
        sourceIsAsTheDocumentWritesIt();
        callsStandUnderTheirHeadings();
        check.end();
    }

    /** Parameters by their names, too, which a compiled class does not tell, and all in the document's order. */
    private static void sourceIsAsTheDocumentWritesIt() throws IOException {
        List<String> found = new ArrayList<>();
        Matcher member = MEMBER.matcher(Files.readString(SOURCE));
        while (member.find()) {
            if (member.group(1) != null) {
                found.add(member.group(1).trim().replaceAll("\\s+", " ") + ";");
            }
        }
        check.same("the face in the source", String.join("\n  ", found), String.join("\n  ", Doc.face()));
    }

    private static void callsStandUnderTheirHeadings() throws IOException {
        Map<String, List<String>> found = new LinkedHashMap<>();
        List<String> calls = new ArrayList<>();
        Matcher member = MEMBER.matcher(Files.readString(SOURCE));
        while (member.find()) {
            if (member.group(2) != null) {
                calls = new ArrayList<>();
                found.put(member.group(2), calls);
            } else {
                Matcher name = NAME.matcher(member.group(1));
                calls.add(name.find() ? name.group(1) : member.group(1));
            }
        }
        check.same("the headings", found.toString(), Doc.headings().toString());
        check.same("headings", found.size(), 4);
    }

    private static void namesAreApart() {
        for (Method one : CoinRails.class.getDeclaredMethods()) {
            for (Method other : CoinRails.class.getDeclaredMethods()) {
                boolean clash = isSeen(one) && !isSeen(other) && one.getName().equals(other.getName());
                check.same("a private " + one.getName(), clash ? 1 : 0, 0);
            }
        }
    }

    private static boolean isSeen(Member member) {
        return !member.isSynthetic() && !Modifier.isPrivate(member.getModifiers());
    }
}
