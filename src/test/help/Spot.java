/**
 * A place in a text at which a number must stand, from low to high: what comes ahead of it and behind it. Each spot is tried with the numbers on
 * both sides of its bounds, and with one to five digits.
 */
final class Spot {
    private final Desk desk;
    private final boolean isTown;

    Spot(Desk desk, boolean isTown) {
        this.desk = desk;
        this.isTown = isTown;
    }

    private void taken(String text) {
        if (isTown) {
            desk.town(text, text.length() - text.replace(";", "").length());
        } else {
            // Eight pictures have room, so each is told to a new object.
            desk.anew();
            desk.picture(text, 0);
        }
    }

    private void refused(String text, int place) {
        if (isTown) {
            desk.badTown(text, place);
        } else {
            desk.badPicture(text, place);
        }
    }

    void tries(String ahead, int low, int high, String behind) {
        int place = ahead.length();
        taken(ahead + low + behind);
        taken(ahead + high + behind);
        refused(ahead + (high + 1) + behind, place);
        if (low > 0) {
            refused(ahead + (low - 1) + behind, place);
        }
        refused(ahead + "-" + low + behind, place);
        String digits = "0000" + low;
        taken(ahead + digits.substring(digits.length() - 4) + behind);
        refused(ahead + digits.substring(digits.length() - 5) + behind, place);
        refused(ahead + "0" + digits.substring(digits.length() - 5) + behind, place);
        refused(ahead + "x" + behind, place);
        refused(ahead + ";" + behind, place);
        refused(ahead, place);
    }
}
