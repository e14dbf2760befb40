import java.lang.reflect.Constructor;
import java.lang.reflect.Field;
import java.lang.reflect.Member;
import java.lang.reflect.Method;
import java.lang.reflect.Modifier;
import java.nio.file.Files;
import java.nio.file.Path;
import java.util.Set;
import java.util.TreeSet;
import java.util.regex.Matcher;
import java.util.regex.Pattern;

/** The public face, as the document writes it, member by member; run in the project's folder. */
public final class FaceTest {
    private static final Pattern METHOD = Pattern.compile("    public (\\w+) (\\w+)\\((.*?)\\)( throws (.*))?;");
    private static final Pattern OTHER = Pattern.compile("    (public static final int \\w+ = -?\\d+;|public GainGraphs\\(\\);)");

    public static void main(String[] args) throws Exception {
        Set<String> due = ofDocument();
        Set<String> got = ofClass();
        Check check = new Check();
        check.told("members of the document", "68", String.valueOf(due.size()));
        for (String member : due) {
            check.told("has " + member, "true", String.valueOf(got.contains(member)));
        }
        for (String member : got) {
            check.told("may have " + member, "true", String.valueOf(due.contains(member)));
        }
        check.told("modifiers", "public final", Modifier.toString(GainGraphs.class.getModifiers()));
        check.finish();
    }

    private static Set<String> ofDocument() throws Exception {
        Set<String> members = new TreeSet<>();
        for (String line : Files.readAllLines(Path.of("..", "shared", "DOC.md"))) {
            Matcher other = OTHER.matcher(line);
            Matcher method = METHOD.matcher(line);
            if (other.matches()) {
                members.add(other.group(1));
            } else if (method.matches()) {
                StringBuilder types = new StringBuilder();
                for (String parameter : method.group(3).split(", ")) {
                    types.append(parameter.split(" ")[0]).append(',');
                }
                String thrown = method.group(5) == null ? "" : method.group(5);
                members.add(text("public", method.group(1), method.group(2), types.toString(), thrown.replace(" ", "")));
            }
        }
        return members;
    }

    private static Set<String> ofClass() throws Exception {
        Set<String> members = new TreeSet<>();
        for (Field field : GainGraphs.class.getDeclaredFields()) {
            if (isSeen(field)) {
                members.add(Modifier.toString(field.getModifiers()) + " int " + field.getName() + " = " + field.get(null) + ";");
            }
        }
        for (Constructor<?> constructor : GainGraphs.class.getDeclaredConstructors()) {
            if (isSeen(constructor)) {
                members.add(constructor.toGenericString() + ";");
            }
        }
        for (Method method : GainGraphs.class.getDeclaredMethods()) {
            if (isSeen(method)) {
                StringBuilder types = new StringBuilder();
                for (Class<?> type : method.getParameterTypes()) {
                    types.append(type).append(',');
                }
                StringBuilder thrown = new StringBuilder();
                for (Class<?> type : method.getExceptionTypes()) {
                    thrown.append(thrown.length() == 0 ? "" : ",").append(type.getSimpleName());
                }
                members.add(text(Modifier.toString(method.getModifiers()), method.getReturnType().toString(), method.getName(),
                        types.length() == 0 ? "," : types.toString(), thrown.toString()));
            }
        }
        return members;
    }

    private static String text(String modifiers, String type, String name, String types, String thrown) {
        return modifiers + " " + type + " " + name + "(" + types + ") throws " + thrown;
    }

    private static boolean isSeen(Member member) {
        return !Modifier.isPrivate(member.getModifiers()) && !member.isSynthetic();
    }
}
