import java.lang.reflect.Constructor;
import java.lang.reflect.Field;
import java.lang.reflect.Member;
import java.lang.reflect.Method;
import java.lang.reflect.Modifier;
import java.nio.file.Files;
import java.nio.file.Path;
import java.util.ArrayList;
import java.util.Arrays;
import java.util.List;
import java.util.TreeSet;
import java.util.regex.Matcher;
import java.util.regex.Pattern;

/** The public face of the document, and those rules of LANGUAGE.md that can be looked up. */
public final class FaceTest {
    private static final List<String> FACE = List.of(
            "public static final int LockDesk.NONE",
            "public static final int LockDesk.ABORTED",
            "public static final int LockDesk.WAITS",
            "public static final int LockDesk.GRANTED",
            "public LockDesk()",
            "public int LockDesk.begin(int) throws java.lang.IllegalArgumentException,java.lang.IllegalStateException",
            "public int LockDesk.lock(int,int,int) throws java.lang.IndexOutOfBoundsException,"
                    + "java.lang.IllegalArgumentException,java.lang.IllegalStateException",
            "public int LockDesk.commit(int) throws java.lang.IndexOutOfBoundsException,"
                    + "java.lang.IllegalStateException",
            "public int LockDesk.abort(int) throws java.lang.IndexOutOfBoundsException,"
                    + "java.lang.IllegalStateException",
            "public int LockDesk.escalate(int,int) throws java.lang.IndexOutOfBoundsException,"
                    + "java.lang.IllegalStateException",
            "public int LockDesk.mode(int,int) throws java.lang.IndexOutOfBoundsException",
            "public int LockDesk.told(int,int) throws java.lang.IndexOutOfBoundsException,"
                    + "java.lang.IllegalArgumentException",
            "public int LockDesk.many(int,boolean) throws java.lang.IndexOutOfBoundsException",
            "public int LockDesk.at(int,int,boolean) throws java.lang.IndexOutOfBoundsException",
            "public long LockDesk.waitsFor(int) throws java.lang.IndexOutOfBoundsException",
            "public int LockDesk.count(int)",
            "public int LockDesk.astray()");

    private static int wrong = 0;

    public static void main(String[] args) throws Exception {
        due("the class is public and final", Modifier.toString(LockDesk.class.getModifiers()), "public final");
        due("the face", visibleMembers(), new TreeSet<>(FACE));
        due("NONE", LockDesk.NONE, -1);
        due("ABORTED", LockDesk.ABORTED, -1);
        due("WAITS", LockDesk.WAITS, 0);
        due("GRANTED", LockDesk.GRANTED, 1);
        due("private methods with a public one's name", privateNamesakes(), new TreeSet<String>());
        due("static fields that are not final", looseStatics(), new TreeSet<String>());
        String source = Files.readString(Path.of("src/main/java/LockDesk.java"));
        for (String banned : List.of("import ", "->", "::", "catch", "synchronized", "finally", "assert ")) {
            due("the source has '" + banned + "'", source.contains(banned), false);
        }
        due("the longest method has at most 60 lines", longestMethod(source) <= 60, true);
        System.out.println(wrong == 0 ? "the face is as due" : wrong + " wrong");
        if (wrong != 0) {
            System.exit(1);
        }
    }

    private static TreeSet<String> visibleMembers() {
        TreeSet<String> found = new TreeSet<>();
        for (Member member : allMembers()) {
            if (!Modifier.isPrivate(member.getModifiers())) {
                found.add(member.toString());
            }
        }
        return found;
    }

    private static List<Member> allMembers() {
        List<Member> found = new ArrayList<>();
        found.addAll(Arrays.<Field>asList(LockDesk.class.getDeclaredFields()));
        found.addAll(Arrays.<Constructor<?>>asList(LockDesk.class.getDeclaredConstructors()));
        found.addAll(Arrays.<Method>asList(LockDesk.class.getDeclaredMethods()));
        return found;
    }

    private static TreeSet<String> privateNamesakes() {
        TreeSet<String> found = new TreeSet<>();
        for (Method one : LockDesk.class.getDeclaredMethods()) {
            for (Method other : LockDesk.class.getDeclaredMethods()) {
                if (Modifier.isPrivate(one.getModifiers()) && Modifier.isPublic(other.getModifiers())
                        && one.getName().equals(other.getName())) {
                    found.add(one.getName());
                }
            }
        }
        return found;
    }

    private static TreeSet<String> looseStatics() {
        TreeSet<String> found = new TreeSet<>();
        for (Field field : LockDesk.class.getDeclaredFields()) {
            if (Modifier.isStatic(field.getModifiers()) && !Modifier.isFinal(field.getModifiers())) {
                found.add(field.getName());
            }
        }
        return found;
    }

    private static int longestMethod(String source) {
        int longest = 0;
        Matcher method = Pattern.compile("(?ms)^    (public|private) [^;=]*?\\{$.*?^    \\}$").matcher(source);
        while (method.find()) {
            longest = Math.max(longest, method.group().split("\n").length);
        }
        return longest == 0 ? Integer.MAX_VALUE : longest;
    }

    private static void due(String what, Object got, Object want) {
        if (!got.equals(want)) {
            wrong++;
            System.out.println(what + ": " + got + ", due is " + want);
        }
    }
}
