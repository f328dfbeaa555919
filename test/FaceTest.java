import java.lang.reflect.Constructor;
import java.lang.reflect.Field;
import java.lang.reflect.Method;
import java.lang.reflect.Modifier;
import java.util.Arrays;
import java.util.List;
import java.util.TreeSet;
import java.util.stream.Collectors;

/** The public face: its constants, constructor and methods, and nothing else. */
public final class FaceTest {
    private static final List<String> METHODS = List.of(
            "int setBand(int, int)", "int removeBand(int)", "int valid(int, int)", "int addLot(int, int, int)",
            "int setReserve(int, int)", "int withdrawLot(int, boolean)", "int addBidder(int)",
            "int setLimit(int, int)", "int set(int, int)", "int bid(int, int, int, int, int)",
            "int withdrawBid(int)", "int type(char)", "int clearText()", "int letter(int, int)", "int undo()",
            "int sale(int, int)", "int ranked(int, int)", "int fate(int)", "int needed(int, int, int)",
            "int lot(int, int)", "int bidOf(int, int)", "int bidder(int, int)", "long seller(int, int)",
            "long account(int)", "int count(int)");
    private static final List<String> CONSTANTS = List.of(
            "int UNKNOWN = -1", "int BAD_VALUE = -2", "int FULL = -3", "int NOT_POSSIBLE = -4", "int NONE = -5",
            "long NO_VALUE = -9223372036854775808");

    public static void main(String[] args) throws IllegalAccessException {
        TreeSet<String> methods = new TreeSet<>();
        TreeSet<String> hidden = new TreeSet<>();
        for (Method method : PostalAuction.class.getDeclaredMethods()) {
            if (Modifier.isPrivate(method.getModifiers())) {
                hidden.add(method.getName());
            } else {
                methods.add(told(method));
            }
        }
        same("methods", methods, new TreeSet<>(METHODS));
        TreeSet<String> constants = new TreeSet<>();
        for (Field field : PostalAuction.class.getDeclaredFields()) {
            if (!Modifier.isPrivate(field.getModifiers())) {
                constants.add(field.getType() + " " + field.getName() + " = " + field.get(null));
            }
        }
        same("constants", constants, new TreeSet<>(CONSTANTS));
        for (String method : METHODS) {
            String name = method.substring(method.indexOf(' ') + 1, method.indexOf('('));
            Script.due("private methods named " + name, hidden.contains(name) ? 1 : 0, 0);
        }
        Constructor<?>[] constructors = PostalAuction.class.getDeclaredConstructors();
        Script.due("constructors", constructors.length, 1);
        Script.due("parameters of the constructor", constructors[0].getParameterCount(), 0);
        Script.due("public final", PostalAuction.class.getModifiers(), Modifier.PUBLIC | Modifier.FINAL);
        objectsStandAlone();
        Script.end("FaceTest");
    }

    private static String told(Method method) {
        String parameters = Arrays.stream(method.getParameterTypes()).map(Class::getName)
                .collect(Collectors.joining(", "));
        return method.getReturnType() + " " + method.getName() + "(" + parameters + ")";
    }

    private static void same(String what, TreeSet<String> got, TreeSet<String> want) {
        if (!got.equals(want)) {
            System.out.println(what + " are " + got + ", due are " + want);
        }
        Script.due(what + " as due", got.equals(want) ? 1 : 0, 1);
    }

    private static void objectsStandAlone() {
        PostalAuction first = new PostalAuction();
        PostalAuction second = new PostalAuction();
        first.addLot(0, 5, 5);
        first.addBidder(50);
        first.set(3, 9);
        first.setBand(0, 7);
        first.type('0');
        Script.due("lots of another object", second.count(0), 0);
        Script.due("bidders of another object", second.count(1), 0);
        Script.due("fee of another object", second.count(11), 2);
        Script.due("steps of another object", second.valid(1, 2), 5);
        Script.due("history of another object", second.count(12), 0);
        Script.due("text of another object", second.count(13), 0);
    }
}
