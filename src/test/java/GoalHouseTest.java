/** Tests of GoalHouse by promises; prints each answer that is not the one that is due. */
public final class GoalHouseTest {
    private static int wrong;
    private static int asked;

    private static void due(String what, long got, long want) {
        asked++;
        if (got != want) {
            wrong++;
            System.out.println(what + ": answered " + got + ", due is " + want);
        }
    }

    public static void main(String[] args) {
        GoalHouse x = new GoalHouse();
        due("cut of an empty tape", x.cut(1), -1);
        due("cut of nothing", x.cut(0), 0);
        System.out.println(asked + " answers looked at, " + wrong + " wrong");
        System.exit(wrong == 0 ? 0 : 1);
    }
}
