import java.lang.reflect.Constructor;
import java.lang.reflect.Method;
import java.util.List;

/** Runs the cases of boundaries, each on an object of its own, and looks whether each promise has some. */
public final class EdgeTest {
    private static final int PROMISES = 52;
    private static final List<Class<? extends Cases>> CASES = List.of(EdgesOfTexts.class, EdgesOfBellTexts.class,
        EdgesOfActs.class, EdgesOfDays.class, EdgesOfBells.class, EdgesOfSeasons.class, EdgesOfTwoTowns.class,
        EdgesOfDeeds.class);

    private EdgeTest() {
    }

    public static void main(String[] args) throws ReflectiveOperationException {
        int[] many = new int[PROMISES + 1];
        int cases = 0;
        for (Class<? extends Cases> group : CASES) {
            Constructor<? extends Cases> anew = group.getDeclaredConstructor();
            for (Method method : group.getDeclaredMethods()) {
                if (method.getName().matches("p\\d\\d_.*")) {
                    method.invoke(anew.newInstance());
                    many[Integer.parseInt(method.getName().substring(1, 3))]++;
                    cases++;
                }
            }
        }
        for (int promise = 1; promise <= PROMISES; promise++) {
            Checks.due("promise " + promise + " has cases", many[promise] > 0, true);
        }
        Checks.close("EdgeTest, " + cases + " cases");
    }
}
