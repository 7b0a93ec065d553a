/** What README.md shows, line for line. */
final class ReadmeExample {
    public static void main(String[] args) {
        HexPond pond = new HexPond();
        String game = "pond 5 by 4; stone red 2,1; stone blue 2,2;"
                + "plan red win; plan red guard; plan red near;"
                + "plan blue save when bridges blue < 3; plan blue at turn * 3, 1;"
                + "plan blue near;";
        System.out.println("error " + teach(pond, game) + " at " + pond.errorAt());
        System.out.println("player " + pond.layStone(1, 1) + " took the cell 6");
        System.out.println("blue would take " + pond.plannedCell());
        System.out.println("by plans " + pond.winnerByPlans() + " would win");
        System.out.println("laid by plans " + pond.playByPlans(81) + ", red has won: " + pond.hasWon(0));
        System.out.println("taken back " + pond.takeBack() + ", red needs " + pond.stonesNeeded(0));
        System.out.println("error " + teach(pond, "pond 5 by 10;") + " at " + pond.errorAt());
        try {
            pond.layStone(5, 0);
        } catch (IndexOutOfBoundsException e) {
            System.out.println("no such cell");
        }
    }

    private static int teach(HexPond pond, String game) {
        StringBuilder text = new StringBuilder(game);
        while (text.length() % 20 != 0) {
            text.append(' ');
        }
        for (int at = 0; at < text.length(); at += 20) {
            pond.feed(four(text, at), four(text, at + 4), four(text, at + 8), four(text, at + 12), four(text, at + 16));
        }
        pond.trim(game.length());
        return pond.teach();
    }

    private static int four(StringBuilder text, int at) {
        return text.charAt(at) << 24 | text.charAt(at + 1) << 16 | text.charAt(at + 2) << 8 | text.charAt(at + 3);
    }
}
